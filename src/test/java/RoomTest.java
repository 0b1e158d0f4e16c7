import com.sun.management.ThreadMXBean;
import java.lang.management.ManagementFactory;
import java.lang.reflect.Array;
import java.lang.reflect.Field;
import java.lang.reflect.Modifier;
import java.util.ArrayDeque;
import java.util.Collections;
import java.util.Deque;
import java.util.IdentityHashMap;
import java.util.Set;

/** How much of the room of a run an object takes, and that the calls on it make nothing more. */
public final class RoomTest extends Asking {
  // A run of 512 constructors would still stay in the room of 600,000 objects and 7,300,000 elements.
  private static final int OBJECTS = 600_000 / 513;
  private static final int ELEMENTS = 7_300_000 / 513;

  public static void main(String[] args) throws Exception {
    InscribedStones x = new InscribedStones();
    holds("a new object", x, OBJECTS, ELEMENTS);
    fill(x);
    holds("a full object", x, 2 * OBJECTS, 2 * ELEMENTS);
    ThreadMXBean threads = (ThreadMXBean) ManagementFactory.getThreadMXBean();
    long own = Thread.currentThread().getId();
    threads.getThreadAllocatedBytes(own);
    askAll(x);
    long before = threads.getThreadAllocatedBytes(own);
    long again = threads.getThreadAllocatedBytes(own);
    for (int i = 0; i < 50; i++) {
      askAll(x);
    }
    long after = threads.getThreadAllocatedBytes(own);
    long made = after - again - (again - before);
    System.out.println("50 rounds of calls made " + made + " bytes");
    due("calls make no objects", made < 50 * 16 ? 1 : 0, 1);
    Due.end();
  }

  private static void holds(String what, Object root, int objects, int elements) throws Exception {
    Set<Object> seen = Collections.newSetFromMap(new IdentityHashMap<>());
    Deque<Object> open = new ArrayDeque<>();
    open.add(root);
    int size = 0;
    while (!open.isEmpty()) {
      Object next = open.pop();
      if (!seen.add(next)) {
        continue;
      }
      if (next.getClass().isArray()) {
        size += Array.getLength(next);
        for (int i = 0; i < Array.getLength(next) && !next.getClass().getComponentType().isPrimitive(); i++) {
          if (Array.get(next, i) != null) {
            open.add(Array.get(next, i));
          }
        }
        continue;
      }
      for (Field field : next.getClass().getDeclaredFields()) {
        if (!Modifier.isStatic(field.getModifiers())) {
          size++;
          field.setAccessible(true);
          if (!field.getType().isPrimitive() && field.get(next) != null) {
            open.add(field.get(next));
          }
        }
      }
    }
    System.out.println(what + ": " + seen.size() + " objects, " + size + " fields and elements");
    due(what + " has few objects", seen.size() <= objects ? 1 : 0, 1);
    due(what + " has few elements", size <= elements ? 1 : 0, 1);
  }

  private static void fill(InscribedStones x) {
    for (int i = 0; i < 12; i++) {
      x.stone(4, 24);
    }
    for (int i = 0; i < 6; i++) {
      x.hand(i);
    }
    for (int i = 0; i < 8; i++) {
      due("200 texts", Due.formula(x, "(a|b|c|d|e|f|g|h|i|j)(a|b|c|d|e|f|g|h|i|j|k|l|m|n|o|p|q|r|s|t)."), i);
    }
    for (int i = 0; i < 12; i++) {
      x.person(1 + i, 0, i);
    }
    for (int i = 0; i < 20; i++) {
      x.bound(i % 11, i % 11 + 1, i);
    }
    for (int i = 0; i < 4; i++) {
      x.tray(i, 40);
    }
  }

  private static void askAll(InscribedStones x) {
    x.read(0, 0, 0, 0, 2, 3);
    x.sign(0, 0, 0, 3);
    x.forget(0, 0, 0, 0);
    x.feed(8, 0x2e61L);
    x.back(0, 0, 0);
    x.text(7, 199, 2);
    x.texts(7);
    x.ways(0, 0, 7);
    x.way(0, 0, 7, 199);
    x.carried(0, 0, 0, 7);
    x.fits(0, 0);
    x.edge(0, 1, 0, 1);
    x.tolerance(1);
    x.room(0, 1);
    x.best(0, 1);
    x.join(0, 1);
    x.joined(0, 1);
    x.whole(0, 0, 7);
    x.part(0);
    x.years(0, 0, 900);
    x.loose();
    x.bound(0, 1, 1);
    x.span(0, 0);
    x.clash();
    x.one(0, 1);
    x.group(11);
    x.father(11);
    x.print(0, 0, 7);
    x.printed(0, 0, 7, 0);
    x.count(7);
    x.tray(0, 40);
    x.cell(0, 0, 97);
    x.lay(0, 0, 0, 0, 0);
    x.taken(0, 0, 0, 0, 0);
  }
}
