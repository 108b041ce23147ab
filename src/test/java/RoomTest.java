import com.sun.management.ThreadMXBean;
import java.lang.management.ManagementFactory;

/** Runs of 512 calls make little: the room of a run is some 600,000 objects, 7.3 million fields and elements. */
public final class RoomTest {
    private static final ThreadMXBean BEAN = (ThreadMXBean) ManagementFactory.getThreadMXBean();
    private static int wrong;

    private RoomTest() {
    }

    private interface Call {
        void on(LostLanes x);
    }

    private static LostLanes full() {
        LostLanes x = new LostLanes();
        for (int i = 0; i < 10; i++) {
            x.lane(i % 5, (i + 1 + i / 5) % 5, 1 + i % 9, i % 5);
        }
        for (int i = 0; i < 4; i++) {
            x.child(1 + i, i);
        }
        x.force(Due.law(x, "turns hour*7+age;says [sight+mood]*3 if hour>2;bars if lane=[hour+last]%10;bars if last=lane"));
        x.wander(0);
        x.cry(0);
        x.hear(x.at(0, 4));
        return x;
    }

    private static void check(String name, int times, long most, Call call) {
        LostLanes x = full();
        call.on(x);
        long before = BEAN.getThreadAllocatedBytes(Thread.currentThread().getId());
        for (int i = 0; i < times; i++) {
            call.on(x);
        }
        long made = BEAN.getThreadAllocatedBytes(Thread.currentThread().getId()) - before;
        if (made > most) {
            wrong++;
            System.out.println(times + " times " + name + " made " + made + " bytes, more than " + most);
        }
    }

    public static void main(String[] args) {
        // Bytes of tests of this kind, and of the machine itself, are within these.
        long nothing = 20000;
        check("where, found, post, again", 120, nothing, x -> {
            x.where(0, 60);
            x.found(3, 1);
            x.post(1);
            x.again(2);
        });
        check("gone, letter, apart, alike, round, dead, posts, far", 60, nothing, x -> {
            x.gone(0);
            x.letter(3, 4, 1);
            x.apart(0);
            x.alike();
            x.round();
            x.dead();
            x.posts(3, 1);
            x.far(0, 4);
        });
        check("decades, few, compare, image, back", 100, nothing, x -> {
            x.decades(5, 60);
            x.few(20, 99);
            x.compare(0, 0);
            x.image(0);
            x.back(0);
        });
        check("pass, wander, cry, lead, undo", 100, nothing, x -> {
            x.pass();
            x.wander(0);
            x.cry(0);
            x.lead(1, 7);
            x.undo();
        });
        String law = "turns 1+1+1+1 if (1=1)" + ";bars if not 1=1".repeat(11);
        check("laws", 24, 2000000, x -> {
            x.image(1);
            Due.law(x, law);
            x.back(1);
        });
        check("orders", 24, 2000000, x -> Due.orders(x, "pass times 20" + ";pass times 20 if 1=1".repeat(11)));
        long before = BEAN.getThreadAllocatedBytes(Thread.currentThread().getId());
        LostLanes one = new LostLanes();
        long made = BEAN.getThreadAllocatedBytes(Thread.currentThread().getId()) - before;
        if (made > 40000 || one.count(0) != 0) {
            wrong++;
            System.out.println("a new object made " + made + " bytes");
        }
        System.out.println("a new object: " + made + " bytes; " + wrong + " wrong");
        if (wrong != 0) {
            System.exit(1);
        }
    }
}
