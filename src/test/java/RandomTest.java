import java.util.ArrayList;
import java.util.List;

/** Runs of 512 calls, drawn by a seed that is always the same, held against the Model's answers. */
public final class RandomTest {
  private static final int RUNS = 1500;
  private static final int CALLS = 512;
  private static final String[] NAMES = {"ofCell", "lit", "weather", "tenant", "ofTenant", "become",
      "as", "lease", "purse", "pardon", "feed", "text", "law", "nights", "loose", "then", "often",
      "whole", "stays", "clash", "least", "beside", "rooms", "falls", "was", "dear", "seed", "voice",
      "trace", "sheet", "put", "move", "leases", "judge", "image", "restore", "tell", "check", "count",
      "told"};
  private static final int[] EDGES = {-1, 24, 16777215, 16777216, -10000, 10000, 9999, -9999, 70, 41,
      101, Integer.MIN_VALUE, Integer.MAX_VALUE, -1000000001, 65536, 127, 128, 255, 32768};
  private static final String[] TEXTS = {"n", "w>4", "p%3=1", "n%2&w<5", "!(p>8|w)", "q*10+c", "r*c+q*q*7",
      "99-q*30", "1", "0", "c/2", "5-q", "((c+1))*(r+1)", "!!!!!w", "(((((n)))))", "1|2&3<4+5*6",
      "n*n*n/(w-3)%7", "q>1", "3*q", "20"};
  private static final String SIGNS = "npwrcq0123456789!!(()))||&&<=>++--**/%";

  private static final Due due = new Due("RandomTest");
  private static long state = 20261118;

  private static int pick(int n) {
    state = state * 6364136223846793005L + 1442695040888963407L;
    return (int) ((state >>> 33) % n);
  }

  public static void main(String[] args) {
    for (int run = 0; run < RUNS; run++) {
      run(run);
    }
    due.end();
  }

  private static void run(int run) {
    MoonRooms x = new MoonRooms();
    Model model = new Model();
    int calls = 0;
    int tenants = run % 8;
    boolean poor = run % 3 == 0;
    while (calls < CALLS) {
      List<Object[]> todo = calls < tenants ? List.<Object[]>of(call("tenant", pick(70))) : draw(poor);
      for (Object[] c : todo) {
        long[] a = (long[]) c[1];
        due.is("run " + run + ", call " + calls + ": " + c[0] + java.util.Arrays.toString(a),
            ask(x, (String) c[0], a), model.call((String) c[0], a));
        calls++;
      }
    }
    for (int k = 1; k <= 5; k++) {
      due.is("run " + run + ": told", x.told(k), model.call("told", k));
    }
  }

  private static Object[] call(String name, long... args) {
    return new Object[] {name, args};
  }

  /** The next calls: one, or several that belong together. */
  private static List<Object[]> draw(boolean poor) {
    List<Object[]> calls = new ArrayList<>();
    int k = pick(100);
    if (k < 6) {
      text(calls);
    } else if (k < 10) {
      sheetOf(calls, pick(7), pick(3));
    } else if (k < 22) {
      calls.add(call("lease", pick(6), cells()));
    } else if (k < 26 && !poor) {
      calls.add(call("purse", pick(6), pick(4) == 0 ? 9999 - pick(20) : pick(400)));
    } else if (k < 29) {
      calls.add(call("pardon", pick(6)));
    } else if (k < 31) {
      calls.add(call("nights", 1 + pick(6)));
    } else if (k < 33) {
      calls.add(call("trace", pick(10)));
    } else if (k < 35) {
      calls.add(call("ofTenant", pick(6), 3));
    } else {
      String name = NAMES[pick(NAMES.length)];
      boolean calm = pick(4) != 0 && (name.equals("nights") || name.equals("restore"));
      calls.add(calm ? call("ofTenant", pick(6), pick(8)) : call(name, args(name)));
    }
    return calls;
  }

  private static void text(List<Object[]> calls) {
    String text = TEXTS[pick(TEXTS.length)];
    int kind = pick(4);
    if (kind == 0) {
      StringBuilder b = new StringBuilder();
      int n = pick(50);
      for (int i = 0; i < n; i++) {
        b.append(SIGNS.charAt(pick(SIGNS.length())));
      }
      text = b.toString();
    } else if (kind == 1) {
      StringBuilder b = new StringBuilder(grown(0, 0, pick(2)));
      if (b.length() > 0 && pick(2) == 0) {
        b.setCharAt(pick(b.length()), SIGNS.charAt(pick(SIGNS.length())));
      }
      text = b.substring(0, Math.min(b.length(), 50));
    }
    for (int i = 0; i < text.length(); i += 8) {
      int n = Math.min(8, text.length() - i);
      long word = 0;
      for (int j = n - 1; j >= 0; j--) {
        word = word << 8 | text.charAt(i + j);
      }
      calls.add(call("feed", word, n));
    }
    calls.add(call("text", pick(2)));
  }

  /** A text that the rules of texts give, or one that opens too much. */
  private static String grown(int level, int open, int use) {
    String[] signs = {"|", "&", "<=>", "+-", "*/%"};
    if (level == 5) {
      int k = pick(open < 6 ? 5 : 3);
      if (k < 2) {
        return "" + "npwrcq".charAt(3 * use + pick(3));
      }
      if (k == 2) {
        return "" + pick(pick(2) == 0 ? 10 : 10000);
      }
      return k == 3 ? "!" + grown(5, open + 1, use) : "(" + grown(0, open + 1, use) + ")";
    }
    String text = grown(level + 1, open, use);
    if (pick(4) == 0) {
      text += signs[level].charAt(pick(signs[level].length())) + grown(level + 1, open, use);
    }
    return text;
  }

  private static void sheetOf(List<Object[]> calls, int n, int what) {
    int sheet = pick(4);
    int bits = new int[] {8, 16, 32, 32}[pick(4)];
    calls.add(call("sheet", sheet, bits, n));
    for (int i = 0; i < n; i++) {
      int v = what == 0 ? pick(2) : what == 1 ? 1 << pick(6) | 1 << pick(6) : (int) cells();
      calls.add(call("put", sheet, i, pick(30) == 0 ? EDGES[pick(EDGES.length)] : v));
    }
    String name = new String[] {"was", "rooms", "leases"}[what];
    calls.add(what == 1 ? call(name, sheet, -1) : call(name, sheet));
    for (int i = 0; i < n && what == 1; i++) {
      calls.add(call(name, sheet, i));
    }
  }

  private static long cells() {
    int k = pick(4);
    if (k == 0) {
      return pick(1 << 24);
    }
    long set = 0;
    for (int i = pick(4); i >= 0; i--) {
      set |= 1L << pick(24);
    }
    return k == 1 ? 0x010101L << pick(8) : set;
  }

  private static long[] args(String name) {
    int[] mosts = switch (name) {
      case "ofCell" -> new int[] {24, 4};
      case "lit" -> new int[] {16};
      case "weather" -> new int[] {10};
      case "tenant" -> new int[] {70};
      case "ofTenant" -> new int[] {6, 8};
      case "become" -> new int[] {6, 70};
      case "as" -> new int[] {6, 7};
      case "lease" -> new int[] {6, 1 << 24};
      case "purse" -> new int[] {6, 10000};
      case "pardon", "whole", "stays", "beside" -> new int[] {6};
      case "feed" -> new int[] {1 << 30, 9};
      case "text", "least" -> new int[] {2};
      case "law" -> new int[] {2, 100, 16, 10};
      case "nights" -> new int[] {102};
      case "loose" -> new int[] {12};
      case "then" -> new int[] {102, 6, 2};
      case "often" -> new int[] {6, 102};
      case "rooms" -> new int[] {4, 6};
      case "falls" -> new int[] {16, 7};
      case "was", "leases", "judge" -> new int[] {4};
      case "dear" -> new int[] {100};
      case "seed", "tell" -> new int[] {25};
      case "voice" -> new int[] {6, 4, 1000};
      case "trace" -> new int[] {10};
      case "sheet" -> new int[] {4, 33, 42};
      case "put" -> new int[] {4, 8, 1 << 24};
      case "move" -> new int[] {4, 8, 4, 8, 8};
      case "count" -> new int[] {11};
      case "told" -> new int[] {7};
      default -> new int[0];
    };
    long[] args = new long[mosts.length];
    for (int i = 0; i < args.length; i++) {
      args[i] = pick(25) == 0 ? EDGES[pick(EDGES.length)] : pick(mosts[i] + (pick(10) == 0 ? 1 : 0));
    }
    if (name.equals("sheet") && pick(3) != 0) {
      args[1] = 8 * new int[] {0, 1, 2, 4}[pick(4)];
    }
    return args;
  }

  private static int ask(MoonRooms x, String name, long[] l) {
    int[] a = new int[5];
    for (int i = 0; i < l.length; i++) {
      a[i] = (int) l[i];
    }
    return switch (name) {
      case "ofCell" -> x.ofCell(a[0], a[1]);
      case "lit" -> x.lit(a[0]);
      case "weather" -> x.weather(a[0]);
      case "tenant" -> x.tenant(a[0]);
      case "ofTenant" -> x.ofTenant(a[0], a[1]);
      case "become" -> x.become(a[0], a[1]);
      case "as" -> x.as(a[0], a[1]);
      case "lease" -> x.lease(a[0], a[1]);
      case "purse" -> x.purse(a[0], a[1]);
      case "pardon" -> x.pardon(a[0]);
      case "feed" -> x.feed(l[0], a[1]);
      case "text" -> x.text(a[0]);
      case "law" -> x.law(a[0], a[1], a[2], a[3]);
      case "nights" -> x.nights(a[0]);
      case "loose" -> x.loose(a[0]);
      case "then" -> x.then(a[0], a[1], a[2]);
      case "often" -> x.often(a[0], a[1]);
      case "whole" -> x.whole(a[0]);
      case "stays" -> x.stays(a[0]);
      case "clash" -> x.clash();
      case "least" -> x.least(a[0]);
      case "beside" -> x.beside(a[0]);
      case "rooms" -> x.rooms(a[0], a[1]);
      case "falls" -> x.falls(a[0], a[1]);
      case "was" -> x.was(a[0]);
      case "dear" -> x.dear(a[0]);
      case "seed" -> x.seed(a[0]);
      case "voice" -> x.voice(a[0], a[1], a[2]);
      case "trace" -> x.trace(a[0]);
      case "sheet" -> x.sheet(a[0], a[1], a[2]);
      case "put" -> x.put(a[0], a[1], a[2]);
      case "move" -> x.move(a[0], a[1], a[2], a[3], a[4]);
      case "leases" -> x.leases(a[0]);
      case "judge" -> x.judge(a[0]);
      case "image" -> x.image();
      case "restore" -> x.restore();
      case "tell" -> x.tell(a[0]);
      case "check" -> x.check();
      case "count" -> x.count(a[0]);
      case "told" -> x.told(a[0]);
      default -> throw new IllegalArgumentException(name);
    };
  }
}
