import java.lang.management.ManagementFactory;
import java.lang.reflect.Executable;
import java.lang.reflect.Field;
import java.lang.reflect.Method;
import java.lang.reflect.Modifier;
import java.util.Set;
import java.util.TreeSet;

/** How much a run of 512 calls makes, counted in bytes of the machine, and what the class shows. */
public final class RoomTest {
    // The room of a run holds 7.3 million fields and elements, most of them of four bytes here.
    private static final long ROOM = 4L * 7_300_000;
    private static int wrong = 0;

    private interface Run {
        void calls();
    }

    private static void fits(String what, Run run) {
        run.calls();
        com.sun.management.ThreadMXBean threads =
            (com.sun.management.ThreadMXBean) ManagementFactory.getThreadMXBean();
        long id = Thread.currentThread().getId();
        long before = threads.getThreadAllocatedBytes(id);
        run.calls();
        long made = threads.getThreadAllocatedBytes(id) - before;
        System.out.println(what + ": " + made + " bytes");
        if (made > ROOM) {
            wrong++;
            System.out.println(what + " makes more than " + ROOM);
        }
    }

    private static PlaneBlocks filled() {
        PlaneBlocks x = new PlaneBlocks();
        x.begin(64, 64, 0, 0);
        x.fill(1234567891, 987654321, 19283746, 0);
        return x;
    }

    private static void newObjects() {
        for (int i = 0; i < 512; i++) {
            new PlaneBlocks();
        }
    }

    private static void newBlocks() {
        for (int i = 0; i < 256; i++) {
            new PlaneBlocks().begin(64, 64, 0, 0);
        }
    }

    private static void newBlocksWritten() {
        for (int i = 0; i < 128; i++) {
            filled().write();
        }
    }

    private static void writtenAndRead() {
        PlaneBlocks x = filled();
        for (int i = 0; i < 256; i++) {
            x.read(x.write());
        }
    }

    private static void everGreater() {
        PlaneBlocks x = new PlaneBlocks();
        for (int i = 0; i < 128; i++) {
            x.begin(1 + i / 2, 1 + (i + 1) / 2 % 64, 0, 5);
            x.fill(1234567891, 987654321, 19283746, 0);
            x.read(x.write());
        }
    }

    private static void refused() {
        PlaneBlocks x = new PlaneBlocks();
        for (int i = 0; i < 512; i++) {
            try {
                x.at(i);
            } catch (IllegalStateException e) {
                continue;
            }
            wrong++;
        }
    }

    private static void face() {
        Set<String> shown = new TreeSet<>();
        for (Method m : PlaneBlocks.class.getDeclaredMethods()) {
            note(shown, m, m.getName());
        }
        for (Executable c : PlaneBlocks.class.getDeclaredConstructors()) {
            note(shown, c, "PlaneBlocks");
        }
        for (Field f : PlaneBlocks.class.getDeclaredFields()) {
            if (!Modifier.isPrivate(f.getModifiers())) {
                shown.add(f.getName());
            }
        }
        String due = "[PlaneBlocks 0, at 1, begin 4, change 2, fill 4, gain 1, known 2, pass 2, read 1, set 3, "
            + "sum 0, value 2, write 0, written 1]";
        if (!shown.toString().equals(due) || !Modifier.isFinal(PlaneBlocks.class.getModifiers())) {
            wrong++;
            System.out.println("the face is " + shown + ", due is " + due);
        }
    }

    private static void note(Set<String> shown, Executable e, String name) {
        if (!Modifier.isPrivate(e.getModifiers())) {
            shown.add(name + " " + e.getParameterCount() + (Modifier.isPublic(e.getModifiers()) ? "" : " not public"));
        }
    }

    public static void main(String[] args) {
        fits("512 new objects", RoomTest::newObjects);
        fits("256 new objects with great blocks", RoomTest::newBlocks);
        fits("128 new objects with great blocks, written", RoomTest::newBlocksWritten);
        fits("one great block, written and read", RoomTest::writtenAndRead);
        fits("blocks that grow", RoomTest::everGreater);
        fits("refused calls", RoomTest::refused);
        face();
        if (wrong != 0) {
            System.exit(1);
        }
    }
}
