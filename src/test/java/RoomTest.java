import java.lang.reflect.Array;
import java.lang.reflect.Field;
import java.lang.reflect.Modifier;
import java.util.ArrayDeque;
import java.util.Collections;
import java.util.Deque;
import java.util.IdentityHashMap;
import java.util.Set;

/**
 * Rule 12 of LANGUAGE.md, and the room that all calls of a run have together: an object takes little, and takes no more
 * after 512 calls that fill it. That no act makes anything LanguageTest sees in the source.
 */
public final class RoomTest {
  private static final int MOST_OBJECTS = 80;
  private static final int MOST_ELEMENTS = 1500;

  private final Set<Object> seen = Collections.newSetFromMap(new IdentityHashMap<>());
  private final Deque<Object> open = new ArrayDeque<>();
  private int elements;

  public static void main(String[] args) throws IllegalAccessException {
    RoomTest before = of(new SoldYear());
    Checks.due("few objects: " + before.seen.size(), before.seen.size() <= MOST_OBJECTS ? 1 : 0, 1);
    Checks.due("few elements: " + before.elements, before.elements <= MOST_ELEMENTS ? 1 : 0, 1);
    SoldYear x = new SoldYear();
    fill(x);
    RoomTest after = of(x);
    Checks.due("objects after 512 calls", after.seen.size(), before.seen.size());
    Checks.due("elements after 512 calls", after.elements, before.elements);
    Checks.end("RoomTest");
  }

  private static RoomTest of(SoldYear x) throws IllegalAccessException {
    RoomTest room = new RoomTest();
    room.look(x);
    while (!room.open.isEmpty()) {
      room.count(room.open.pop());
    }
    return room;
  }

  /** Texts that are constants belong to the class, not to an object. */
  private void look(Object part) {
    if (part != null && !(part instanceof String) && seen.add(part)) {
      open.push(part);
    }
  }

  private void count(Object part) throws IllegalAccessException {
    if (part.getClass().isArray()) {
      elements += Array.getLength(part);
      for (int i = 0; i < Array.getLength(part) && part instanceof Object[]; i++) {
        look(Array.get(part, i));
      }
      return;
    }
    for (Field field : part.getClass().getDeclaredFields()) {
      if (!Modifier.isStatic(field.getModifiers())) {
        elements++;
        field.setAccessible(true);
        look(field.getType().isPrimitive() ? null : field.get(part));
      }
    }
  }

  private static void fill(SoldYear x) {
    int calls = 0;
    for (int round = 0; calls < 500; round++) {
      x.sale(40 + round, round % 4, (round + 1) % 4);
      x.thing(round % 70, round % 4, 7 * round);
      x.paper(40 + round % 4, round);
      x.feed(0x612b612b612b6161L, 1 + round % 8);
      x.text(round % 2);
      x.sheet(round % 4, 8 << round % 3, round % 25);
      x.tell(round);
      x.voice(0, round % 4, round);
      x.image();
      x.restore();
      calls += 10;
    }
  }
}
