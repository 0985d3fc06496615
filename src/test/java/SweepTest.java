import java.lang.reflect.InvocationTargetException;
import java.lang.reflect.Method;
import java.util.Set;

/**
 * Every call with every mixture of edge values, in three states: none throws, each answers as the oracle does, and none
 * refuses by what it does not name. (No call tells anything below 0, so no refusal is 100000 less.)
 */
public final class SweepTest extends Kit {
  private static final int[] MANY = {
    MIN, MIN + 1, -65536, -257, -256, -25, -9, -2, -1, 0, 1, 2, 3, 4, 5, 6, 7, 8, 9, 15, 16, 22, 23, 24, 25, 59, 60, 61, 98, 99, 100, 127,
    128, 159, 160, 161, 199, 200, 201, 254, 255, 256, 257, 511, 512, 998, 999, 1000, 65535, 65536, 65537, 1 << 30, MAX - 1, MAX
  };
  private static final int[] SOME = {MIN, -256, -1, 0, 1, 2, 3, 4, 8, 15, 22, 23, 24, 25, 255, 256, MAX - 1, MAX};
  private static final int[] FEW = {MIN, -1, 0, 1, 2, 3, 4, 8, 16, 24, MAX};
  private static final int[] FEWER = {MIN, -1, 0, 1, 3, 4, 8, 99, MAX};
  private static final int[][] BY_ARITY = {{}, MANY, MANY, SOME, FEW, FEWER};

  private static final String[] NAMES = {"part", "told", "stand", "person", "set", "want", "count", "may", "week", "can", "carry",
    "build", "worth", "judged", "wrong", "sheet", "drop", "film", "copy", "type", "item"};
  private static final int[] ARITIES = {5, 2, 1, 1, 2, 1, 1, 2, 2, 1, 2, 2, 2, 4, 5, 3, 1, 3, 5, 2, 4};
  private static final Object[] NAMED = {
    Set.of(BAD, FULL), Set.of(BAD), Set.of(BAD, NOT), Set.of(BAD, FULL), Set.of(BAD), Set.of(BAD), Set.of(BAD), Set.of(BAD),
    Set.of(BAD, NOT), Set.of(BAD, NONE), Set.of(BAD, NONE), Set.of(BAD), Set.of(BAD), Set.of(BAD, NULL, CAST, INDEX, NONE),
    Set.of(BAD, NULL, CAST, INDEX), Set.of(BAD, SIZE), Set.of(BAD, NULL), Set.of(BAD, NONE, NULL, CAST, INDEX),
    Set.of(BAD, NULL, CAST, INDEX), Set.of(BAD, FULL), Set.of(BAD, NULL, CAST, INDEX)
  };
  private static final long[] WORDS = {0, 31, 32, 126, 127, 128, 255, 0x2020L, 0x1f20L, 0x207fL, 0x2020_2020_2020_2020L,
    0x7e7e_7e7e_7e7e_7e7eL, 0x8020_2020_2020_2020L, 0x1f20_2020_2020_2020L, -1, Long.MIN_VALUE, Long.MAX_VALUE, 0xff00_0000_0000_0020L};

  /** Each a row of calls: which one, and its arguments. */
  private static final String[] STATES = {
    "",
    "part 0 10 1 0 0;part 1 20 40 1 0;part 2 5 0 2 1;part 3 31 99 3 0;stand 5;person 5;want 9;set 0 12;set 1 60;"
      + "sheet 0 0 24;sheet 1 1 3;sheet 2 2 0;item 0 0 0 1;item 0 0 1 2;item 1 1 0 256;item 1 1 2 -1;type 104 1",
    "part 0 9 9 0 0;part 0 9 9 1 0;part 0 9 9 2 0;part 0 9 9 3 0;part 0 9 9 0 0;part 0 9 9 1 0;part 0 9 9 2 0;part 0 9 9 3 127;"
      + "stand 15;want 112;person 17;person 34;person 255;person 255;set 0 999;set 1 999;"
      + "sheet 0 0 24;sheet 1 1 24;sheet 2 2 24;sheet 3 0 24;image"
  };

  private Object x = new DownAsUp(), o = new Oracle();
  private int calls = 0;

  public static void main(String[] args) throws Exception {
    for (int state = 0; state < STATES.length; state++)
      for (int call = 0; call < NAMES.length; call++) new SweepTest().sweep(state, call);
    end();
  }

  private void sweep(int state, int call) throws Exception {
    int arity = ARITIES[call];
    long[][] values = new long[arity][];
    for (int i = 0; i < arity; i++) values[i] = wide(BY_ARITY[arity]);
    if (NAMES[call].equals("type")) values[0] = WORDS;
    if (NAMES[call].equals("item")) values[3] = WORDS;
    int all = 1;
    for (long[] v : values) all *= v.length;
    calls = 512;
    for (int code = 0; code < all; code++) {
      long[] a = new long[arity];
      int rest = code;
      for (int i = arity - 1; i >= 0; i--) {
        a[i] = values[i][rest % values[i].length];
        rest /= values[i].length;
      }
      if (calls >= 500) renew(state);
      ask(state, call, a);
    }
  }

  private static long[] wide(int[] values) {
    long[] all = new long[values.length];
    for (int i = 0; i < all.length; i++) all[i] = values[i];
    return all;
  }

  private void renew(int state) throws Exception {
    x = new DownAsUp();
    o = new Oracle();
    calls = 0;
    for (String line : STATES[state].split(";")) {
      if (line.isEmpty()) continue;
      String[] words = line.split(" ");
      long[] a = new long[words.length - 1];
      for (int i = 0; i < a.length; i++) a[i] = Long.parseLong(words[i + 1]);
      due("state " + state + ", " + line, call(x, words[0], a), call(o, words[0], a));
      calls++;
    }
  }

  private void ask(int state, int call, long[] a) throws Exception {
    String what = NAMES[call] + java.util.Arrays.toString(a) + " in state " + state;
    int got;
    try {
      got = call(x, NAMES[call], a);
    } catch (InvocationTargetException e) {
      due(what + " threw " + e.getCause(), 1, 0);
      renew(state);
      return;
    }
    calls++;
    due(what, got, call(o, NAMES[call], a));
    if (got < 0 && !((Set<?>) NAMED[call]).contains(got)) due(what + " names no such refusal", got, 0);
  }

  private static int call(Object on, String name, long[] a) throws Exception {
    for (Method m : on.getClass().getDeclaredMethods()) {
      if (!m.getName().equals(name) || m.getParameterCount() != a.length || m.getReturnType() != int.class) continue;
      Object[] all = new Object[a.length];
      for (int i = 0; i < a.length; i++) {
        if (m.getParameterTypes()[i] == long.class) all[i] = a[i];
        else all[i] = (int) a[i];
      }
      return (int) m.invoke(on, all);
    }
    throw new IllegalStateException(name);
  }
}
