import java.lang.management.ManagementFactory;
import java.lang.reflect.Array;
import java.lang.reflect.Field;
import java.lang.reflect.Modifier;
import java.util.ArrayList;
import java.util.IdentityHashMap;
import java.util.List;
import java.util.Map;

/** The room that an object takes: all is made with it, and no call behind that makes anything. */
public final class RoomTest {
    private static final Check check = new Check();
    private static final int MOST_OBJECTS = 50;
    private static final int MOST_ELEMENTS = 3000;
    /** Far less than one small object for each call. */
    private static final long MOST_BYTES = 1000;

    public static void main(String[] args) throws ReflectiveOperationException {
        sizeOfAnObject();
        filesOfAllKinds();
        callsKeepNothing();
        callsMakeNothing();
        check.end();
    }

    private static void sizeOfAnObject() throws ReflectiveOperationException {
        Map<Object, Integer> parts = partsOf(new StillPicture());
        int elements = 0;
        for (int count : parts.values()) {
            elements += count;
        }
        check.due("objects: " + parts.size(), true, parts.size() <= MOST_OBJECTS);
        check.due("fields and elements: " + elements, true, elements <= MOST_ELEMENTS);
    }

    private static void callsKeepNothing() throws ReflectiveOperationException {
        StillPicture x = new StillPicture();
        Map<Object, Integer> before = partsOf(x);
        for (int turn = 0; turn < 3; turn++) {
            allCalls(x, file(turn));
        }
        Map<Object, Integer> after = partsOf(x);
        check.due("objects behind some calls", before.size(), after.size());
        for (Object part : after.keySet()) {
            check.due("an object that was there before: " + part.getClass(), true, before.containsKey(part));
        }
    }

    private static void callsMakeNothing() {
        com.sun.management.ThreadMXBean threads = (com.sun.management.ThreadMXBean) ManagementFactory.getThreadMXBean();
        StillPicture x = new StillPicture();
        int[][] files = {file(0), file(1), file(2)};
        // The first turns load what the machine needs to run the calls.
        for (int turn = 0; turn < 30; turn++) {
            allCalls(x, files[turn % 3]);
        }
        long before = threads.getThreadAllocatedBytes(Thread.currentThread().getId());
        for (int turn = 0; turn < 300; turn++) {
            allCalls(x, files[turn % 3]);
        }
        long made = threads.getThreadAllocatedBytes(Thread.currentThread().getId()) - before;
        check.due("bytes made by calls: " + made, true, made < MOST_BYTES);
    }

    /** A picture of three planes with all kinds of blocks, one whose difference is too great, and no picture. */
    private static int[] file(int kind) {
        FileMaker made = new FileMaker();
        made.layout = 1;
        made.width = 16;
        made.height = 16;
        made.soft = 1;
        made.level = 3;
        made.strength = 2;
        made.q = 5;
        made.tile = new int[100];
        for (int i = 0; i < made.tile.length; i++) {
            made.tile[i] = kind == 0 ? (i * 73 + 190) & 255 : 0;
        }
        if (kind == 1) {
            TileWriter tile = new TileWriter(false).symbol(0, 0).symbol(2, 0).symbol(6, 0).symbol(10, 0);
            tile.symbol(8, 0).symbol(11, 0).symbol(13, 3);
            for (int i = 0; i < 13; i++) {
                tile.bit(0);
            }
            made.tile = tile.bytes();
        }
        if (kind == 2) {
            made.brand = FileMaker.list(2, 'f');
        }
        return made.build();
    }

    private static void filesOfAllKinds() {
        check.due("a picture", StillPicture.FINE, FileMaker.load(file(0)).decode());
        check.due("a difference that is too great", StillPicture.DATA, FileMaker.load(file(1)).decode());
        check.due("no brand", StillPicture.BRAND, FileMaker.load(file(2)).decode());
    }

    private static void allCalls(StillPicture x, int[] file) {
        x.clear();
        x.word(7);
        x.clear();
        for (int i = 0; i < file.length; i++) {
            x.add(file[i]);
        }
        x.patch(0, file[0]);
        x.decode();
        for (int i = -1; i < 17; i++) {
            x.sample(i, i, i);
            x.block(i, i, i);
            x.table(i, i);
        }
        x.size();
        x.planes();
        x.width();
        x.height();
        x.depth();
        x.blocks();
        x.symbols();
        x.taken();
    }

    /** An object and all that it holds, each with the number of its fields or elements. */
    private static Map<Object, Integer> partsOf(Object whole) throws ReflectiveOperationException {
        Map<Object, Integer> parts = new IdentityHashMap<>();
        List<Object> open = new ArrayList<>(List.of(whole));
        while (!open.isEmpty()) {
            Object part = open.remove(open.size() - 1);
            if (parts.containsKey(part)) {
                continue;
            }
            if (part.getClass().isArray()) {
                parts.put(part, Array.getLength(part));
                continue;
            }
            int fields = 0;
            for (Field field : part.getClass().getDeclaredFields()) {
                if (Modifier.isStatic(field.getModifiers())) {
                    continue;
                }
                fields++;
                field.setAccessible(true);
                Object held = field.get(part);
                if (!field.getType().isPrimitive() && held != null) {
                    open.add(held);
                }
            }
            parts.put(part, fields);
        }
        return parts;
    }
}
