import java.util.ArrayList;
import java.util.List;
import java.util.TreeSet;

/** The document once more, written another way and without regard to speed: sets of numbers, trees,
    errors that are thrown, all choices tried. RandomTest holds the class against it. */
final class Model {
  static final class Err extends RuntimeException {
    final int k;

    Err(int k) {
      super(null, null, false, false);
      this.k = k;
    }
  }

  static final int BEYOND = 1;
  static final int NONE = 2;
  static final int STATE = 3;
  static final int FULL = 4;
  static final int KIND = 5;

  private static void must(boolean good, int error) {
    if (!good) {
      throw new Err(error);
    }
  }

  // ---- kinds as classes

  private static class Kind {
    int m;
    List<Integer> trace;
    int n;

    boolean looksAt(int night, World w, Renter t) { return true; }
    int earnsBy(int cells) { return 5; }
    int owesOf(int v, int others) { return v; }
    int looks(int x) { trace.add(10); return x + n; }
    int pays(int x) { trace.add(11); return looks(x) * 2; }
    int holds(int x) { trace.add(12); return x - m; }
    int tells(int x) { trace.add(13); int a = pays(x); int b = holds(x); return a ^ b; }
  }

  private static class Poet extends Kind {
    @Override boolean looksAt(int night, World w, Renter t) { return m >= 3 || night % 3 == m; }
    @Override int earnsBy(int cells) { return 9; }
    @Override int owesOf(int v, int others) { return v / 2; }
    @Override int looks(int x) { trace.add(20); return super.looks(x) * 3; }
  }

  private static class Widower extends Kind {
    @Override boolean looksAt(int night, World w, Renter t) {
      for (int c : t.cells) { if (isLit(c, night % 16)) { return true; } }
      return false;
    }
    @Override int owesOf(int v, int others) { return v + m; }
    @Override int holds(int x) { trace.add(30); return -super.holds(x); }
  }

  private static class Banker extends Kind {
    @Override boolean looksAt(int night, World w, Renter t) { return (night & 1) == 0; }
    @Override int earnsBy(int cells) { return cells + cells; }
    @Override int owesOf(int v, int others) { return v - v / 10; }
    @Override int pays(int x) { trace.add(40); int a = super.pays(x); return a - holds(1); }
  }

  private static class Sharer extends Poet {
    @Override int owesOf(int v, int others) { return super.owesOf(v, others) / (1 + others); }
    @Override int tells(int x) { trace.add(50); int a = super.tells(x); return a - looks(2); }
  }

  private static class Ghost extends Widower {
    @Override boolean looksAt(int night, World w, Renter t) { return false; }
    @Override int earnsBy(int cells) { return 0; }
    @Override int holds(int x) { trace.add(60); return super.holds(x) ^ n; }
    @Override int tells(int x) { trace.add(61); int a = pays(x); return a - super.tells(x); }
  }

  private static class Agent extends Banker {
    @Override int owesOf(int v, int others) { return Math.max(super.owesOf(v, others) - m, 0); }
    @Override int pays(int x) { trace.add(70); return super.pays(x + 1); }
  }

  private static final List<Class<?>> KINDS = List.of(Kind.class, Poet.class, Widower.class,
      Banker.class, Sharer.class, Ghost.class, Agent.class);

  private static Kind kindOf(int km) {
    Kind k = switch (km / 10) {
      case 0 -> new Kind();
      case 1 -> new Poet();
      case 2 -> new Widower();
      case 3 -> new Banker();
      case 4 -> new Sharer();
      case 5 -> new Ghost();
      default -> new Agent();
    };
    k.m = km % 10;
    return k;
  }

  private static final class Renter {
    Kind kind;
    TreeSet<Integer> cells = new TreeSet<>();
    int purse;
    boolean evicted;
  }

  // ---- texts as trees

  private static final class Tree {
    char sign;
    int number;
    Tree left;
    Tree right;

    int value(int[] names) {
      if (sign == '#') { return number; }
      if (sign == '$') { return names[number]; }
      int l = left.value(names);
      if (sign == '!') { return l == 0 ? 1 : 0; }
      int r = right.value(names);
      return switch (sign) {
        case '|' -> (l | r) != 0 ? 1 : 0;
        case '&' -> l == 0 ? 0 : r == 0 ? 0 : 1;
        case '<' -> l < r ? 1 : 0;
        case '>' -> r < l ? 1 : 0;
        case '=' -> l == r ? 1 : 0;
        case '+' -> (int) ((long) l + r);
        case '-' -> (int) ((long) l - r);
        case '*' -> (int) ((long) l * r);
        case '/' -> r == 0 ? 0 : (int) ((long) l / r);
        default -> r == 0 ? 0 : (int) ((long) l % r);
      };
    }
  }

  /** A sign machine: stacks of trees and of signs; null and a fault if the text isn't one. */
  private static final class Shunter {
    final ArrayList<Tree> trees = new ArrayList<>();
    final ArrayList<Character> signs = new ArrayList<>();
    int fault = -1;

    static int rank(char c) {
      return switch (c) {
        case '|' -> 1;
        case '&' -> 2;
        case '<', '=', '>' -> 3;
        case '+', '-' -> 4;
        case '*', '/', '%' -> 5;
        case '!' -> 6;
        default -> 0;
      };
    }

    void reduce(int least) {
      while (!signs.isEmpty() && rank(signs.get(signs.size() - 1)) >= least) {
        Tree t = new Tree();
        t.sign = signs.remove(signs.size() - 1);
        Tree last = trees.remove(trees.size() - 1);
        if (t.sign == '!') {
          t.left = last;
        } else {
          t.right = last;
          t.left = trees.remove(trees.size() - 1);
        }
        trees.add(t);
      }
    }

    int open() {
      int open = 0;
      for (char c : signs) { open += c == '!' || c == '(' ? 1 : 0; }
      return open;
    }

    void leaf(char sign, int number) {
      Tree t = new Tree();
      t.sign = sign;
      t.number = number;
      trees.add(t);
    }

    /** Takes one byte; whether a text can go on with it. */
    boolean step(char c, String names, boolean[] wants, int[] digits) {
      boolean digit = c >= '0' && c <= '9';
      if (wants[0]) {
        if (digit) {
          leaf('#', c - '0');
          digits[0] = 1;
          wants[0] = false;
          reduce(6);
          return true;
        }
        if (names.indexOf(c) >= 0) {
          leaf('$', names.indexOf(c));
          digits[0] = 0;
          wants[0] = false;
          reduce(6);
          return true;
        }
        if ((c == '!' || c == '(') && open() < 5) {
          signs.add(c);
          return true;
        }
        return false;
      }
      if (digit) {
        if (digits[0] == 0 || digits[0] == 4) { return false; }
        Tree t = trees.get(trees.size() - 1);
        while (t.sign == '!') { t = t.left; }
        t.number = t.number * 10 + (c - '0');
        digits[0]++;
        return true;
      }
      digits[0] = 0;
      if (c == ')') {
        reduce(1);
        if (signs.isEmpty()) { return false; }
        signs.remove(signs.size() - 1);
        reduce(6);
        return true;
      }
      int rank = rank(c);
      if (rank < 1 || rank > 5) { return false; }
      reduce(rank == 3 ? 4 : rank);
      if (rank == 3 && !signs.isEmpty() && rank(signs.get(signs.size() - 1)) == 3) { return false; }
      signs.add(c);
      wants[0] = true;
      return true;
    }

    Tree read(List<Integer> tape, String names) {
      boolean[] wants = {true};
      int[] digits = {0};
      for (int i = 0; i < tape.size(); i++) {
        if (!step((char) (int) tape.get(i), names, wants, digits)) {
          fault = i;
          return null;
        }
      }
      if (wants[0] || signs.contains('(')) {
        fault = tape.size();
        return null;
      }
      reduce(1);
      return trees.get(0);
    }
  }

  // ---- the world

  private static final class World {
    int night;
    int weather;
    int z = 1;
    ArrayList<Renter> renters = new ArrayList<>();
    ArrayList<Integer> tape = new ArrayList<>();
    ArrayList<Integer> waits = new ArrayList<>();
    Tree[] texts = new Tree[2];

    World copy() {
      World w = new World();
      w.night = night;
      w.weather = weather;
      w.z = z;
      for (Renter r : renters) {
        Renter c = new Renter();
        c.kind = kindOf(10 * KINDS.indexOf(r.kind.getClass()) + r.kind.m);
        c.cells = new TreeSet<>(r.cells);
        c.purse = r.purse;
        c.evicted = r.evicted;
        w.renters.add(c);
      }
      w.tape.addAll(tape);
      w.waits.addAll(waits);
      w.texts = texts.clone();
      return w;
    }

    int law(int use, int a, int b, int c) {
      if (use == 0) { return texts[0] == null ? 0 : texts[0].value(new int[] {a, b, c}); }
      int v = texts[1] == null ? 1 + b / 4 : texts[1].value(new int[] {a, b, c});
      return v < 0 ? 0 : v > 99 ? 99 : v;
    }

    boolean seen(int cell, int at) {
      return isLit(cell, at % 16) && law(0, at, at % 16, weather) == 0;
    }

    int seenCount(int at) {
      int n = 0;
      for (int c = 0; c < 24; c++) { n += seen(c, at) ? 1 : 0; }
      return n;
    }

    List<Integer> holders(int cell) {
      List<Integer> who = new ArrayList<>();
      for (int i = 0; i < renters.size(); i++) {
        if (renters.get(i).cells.contains(cell)) { who.add(i); }
      }
      return who;
    }

    int rent(int cell) {
      return law(1, cell / 8, cell % 8, holders(cell).size());
    }

    int owes(int i) {
      Renter r = renters.get(i);
      int v = 0;
      TreeSet<Integer> others = new TreeSet<>();
      for (int c : r.cells) {
        v += rent(c);
        others.addAll(holders(c));
      }
      others.remove(i);
      return r.kind.owesOf(v, others.size());
    }

    void pass() {
      for (Renter r : renters) {
        if (r.evicted || !r.kind.looksAt(night, this, r)) { continue; }
        int cells = 0;
        for (int c : r.cells) { cells += seen(c, night) ? 1 : 0; }
        if (cells > 0) { r.purse = Math.min(9999, r.purse + r.kind.earnsBy(cells)); }
      }
      night++;
      if (night % 4 != 0) { return; }
      for (int i = 0; i < renters.size(); i++) {
        Renter r = renters.get(i);
        if (r.evicted) { continue; }
        r.purse = Math.max(-9999, r.purse - owes(i));
        if (r.purse < 0) {
          r.evicted = true;
          r.cells.clear();
        }
      }
    }

    int draw() {
      z = (int) (z * 1103515245L + 12345L);
      return (int) ((z & 0xFFFFFFFFL) / 256);
    }

    int evicted() {
      int n = 0;
      for (Renter r : renters) { n += r.evicted ? 1 : 0; }
      return n;
    }

    boolean clash(int i, int j) {
      Renter a = renters.get(i);
      Renter b = renters.get(j);
      if (a.kind instanceof Sharer && b.kind instanceof Sharer) { return false; }
      TreeSet<Integer> both = new TreeSet<>(a.cells);
      both.retainAll(b.cells);
      return !both.isEmpty();
    }
  }

  private World world = new World();
  private World kept;
  private int images;
  private List<Integer> trace = new ArrayList<>();
  private final int[][] sheets = new int[4][];
  private final int[] bits = new int[4];
  private final int[] errors = new int[6];

  private static boolean isLit(int cell, int phase) {
    int column = cell % 8;
    return phase <= 8 ? column > 7 - phase : column < 16 - phase;
  }

  private static TreeSet<Integer> cellsOf(int set) {
    TreeSet<Integer> cells = new TreeSet<>();
    for (int c = 0; c < 24; c++) { if ((set & 1 << c) != 0) { cells.add(c); } }
    return cells;
  }

  private static int setOf(Iterable<Integer> cells) {
    int set = 0;
    for (int c : cells) { set += 1 << c; }
    return set;
  }

  private static boolean isSet(int v) { return v >= 0 && v < 1 << 24; }

  private Renter renter(int i) {
    must(i >= 0 && i < world.renters.size(), BEYOND);
    return world.renters.get(i);
  }

  private static void range(int v, int a, int b) { must(a <= v && v <= b, BEYOND); }

  private int[] theSheet(int i) {
    range(i, 0, 3);
    must(sheets[i] != null, NONE);
    return sheets[i];
  }

  /** The answer of a call by its name, an error as LOW - k. */
  int call(String name, long... a) {
    try {
      return answer(name, a);
    } catch (Err e) {
      errors[e.k]++;
      return -1000000000 - e.k;
    }
  }

  private int answer(String name, long[] l) {
    int a = l.length > 0 ? (int) l[0] : 0;
    int b = l.length > 1 ? (int) l[1] : 0;
    int c = l.length > 2 ? (int) l[2] : 0;
    int d = l.length > 3 ? (int) l[3] : 0;
    int e = l.length > 4 ? (int) l[4] : 0;
    return switch (name) {
      case "ofCell" -> ofCell(a, b);
      case "lit" -> lit(a);
      case "weather" -> weather(a);
      case "tenant" -> tenant(a);
      case "ofTenant" -> ofTenant(a, b);
      case "become" -> become(a, b);
      case "as" -> as(a, b);
      case "lease" -> lease(a, b);
      case "purse" -> purse(a, b);
      case "pardon" -> pardon(a);
      case "feed" -> feed(l[0], b);
      case "text" -> text(a);
      case "law" -> law(a, b, c, d);
      case "nights" -> nights(a);
      case "loose" -> loose(a);
      case "then" -> then(a, b, c);
      case "often" -> often(a, b);
      case "whole" -> whole(a);
      case "stays" -> stays(a);
      case "clash" -> clash();
      case "least" -> least(a);
      case "beside" -> beside(a);
      case "rooms" -> rooms(a, b);
      case "falls" -> falls(a, b);
      case "was" -> was(a);
      case "dear" -> dear(a);
      default -> more(name, a, b, c, d, e);
    };
  }

  private int more(String name, int a, int b, int c, int d, int e) {
    return switch (name) {
      case "seed" -> { int was = world.z; world.z = a; yield was; }
      case "voice" -> voice(a, b, c);
      case "trace" -> { must(a >= 0 && a < trace.size(), NONE); yield trace.get(a); }
      case "sheet" -> sheet(a, b, c);
      case "put" -> put(a, b, c);
      case "move" -> move(a, b, c, d, e);
      case "leases" -> leases(a);
      case "judge" -> judge(a);
      case "image" -> { kept = world.copy(); yield ++images; }
      case "restore" -> { must(kept != null, NONE); world = kept.copy(); yield world.night; }
      case "tell" -> { must(world.waits.size() < 20, FULL); world.waits.add(a); yield world.waits.size(); }
      case "check" -> check();
      case "count" -> count(a);
      case "told" -> { range(a, 1, 5); yield errors[a]; }
      default -> throw new IllegalArgumentException(name);
    };
  }

  private int ofCell(int cell, int what) {
    range(cell, 0, 23);
    range(what, 0, 3);
    return switch (what) {
      case 0 -> isLit(cell, world.night % 16) ? 1 : 0;
      case 1 -> world.seen(cell, world.night) ? 1 : 0;
      case 2 -> world.rent(cell);
      default -> setOf(world.holders(cell));
    };
  }

  private int lit(int phase) {
    range(phase, 0, 15);
    TreeSet<Integer> cells = new TreeSet<>();
    for (int c = 0; c < 24; c++) { if (isLit(c, phase)) { cells.add(c); } }
    return setOf(cells);
  }

  private int weather(int v) {
    range(v, 0, 9);
    int was = world.weather;
    world.weather = v;
    return was;
  }

  private int tenant(int km) {
    range(km, 0, 69);
    must(world.renters.size() < 6, FULL);
    Renter r = new Renter();
    r.kind = kindOf(km);
    world.renters.add(r);
    return world.renters.size() - 1;
  }

  private int ofTenant(int i, int what) {
    Renter r = renter(i);
    range(what, 0, 7);
    TreeSet<Integer> seen = new TreeSet<>(r.cells);
    seen.removeIf(c -> !world.seen(c, world.night));
    return switch (what) {
      case 0 -> KINDS.indexOf(r.kind.getClass());
      case 1 -> r.kind.m;
      case 2 -> setOf(r.cells);
      case 3 -> r.purse + 100000;
      case 4 -> r.evicted ? 1 : 0;
      case 5 -> r.kind.looksAt(world.night, world, r) ? 1 : 0;
      case 6 -> setOf(seen);
      default -> world.owes(i);
    };
  }

  private int become(int i, int km) {
    Renter r = renter(i);
    range(km, 0, 69);
    int was = KINDS.indexOf(r.kind.getClass());
    r.kind = kindOf(km);
    return was;
  }

  private int as(int i, int kind) {
    Renter r = renter(i);
    range(kind, 0, 6);
    must(KINDS.get(kind).isInstance(r.kind), KIND);
    return r.kind.m;
  }

  private int lease(int i, int set) {
    Renter r = renter(i);
    must(isSet(set), BEYOND);
    must(!r.evicted, STATE);
    int was = setOf(r.cells);
    r.cells = cellsOf(set);
    return was;
  }

  private int purse(int i, int v) {
    Renter r = renter(i);
    range(v, -9999, 9999);
    int was = r.purse;
    r.purse = v;
    return was + 100000;
  }

  private int pardon(int i) {
    Renter r = renter(i);
    must(r.evicted, STATE);
    r.evicted = false;
    r.purse = 0;
    return world.evicted();
  }

  private int feed(long word, int n) {
    range(n, 1, 8);
    must(world.tape.size() + n <= 50, FULL);
    for (int i = 0; i < n; i++) {
      world.tape.add((int) (word & 255));
      word = word >>> 8;
    }
    return world.tape.size();
  }

  private int text(int use) {
    range(use, 0, 1);
    Shunter s = new Shunter();
    Tree t = s.read(world.tape, use == 0 ? "npw" : "rcq");
    world.tape.clear();
    if (t == null) { return -10 - s.fault; }
    world.texts[use] = t;
    return 1;
  }

  private int law(int use, int a, int b, int c) {
    range(use, 0, 1);
    return world.law(use, a, b, c);
  }

  private int nights(int n) {
    range(n, 1, 100);
    must(world.night + n <= 9999, STATE);
    for (int i = 0; i < n; i++) { world.pass(); }
    return world.evicted();
  }

  private int loose(int n) {
    range(n, 1, 40);
    must(world.night + n <= 9999, STATE);
    for (int i = 0; i < n; i++) {
      world.weather = world.draw() % 10;
      if (!world.renters.isEmpty()) {
        Renter r = world.renters.get(world.draw() % world.renters.size());
        int cell = world.draw() % 24;
        if (!r.evicted) { r.cells.add(cell); }
      }
      world.pass();
    }
    return world.evicted();
  }

  private int then(int n, int i, int what) {
    range(n, 0, 100);
    renter(i);
    range(what, 0, 1);
    World w = world.copy();
    for (int k = 0; k < n; k++) { w.pass(); }
    Renter r = w.renters.get(i);
    return what == 0 ? r.purse + 100000 : setOf(r.cells);
  }

  private int often(int i, int n) {
    Renter r = renter(i);
    range(n, 1, 100);
    int times = 0;
    for (int at = world.night; at < world.night + n; at++) {
      boolean sees = false;
      for (int c : r.cells) { sees |= world.seen(c, at); }
      times += sees && r.kind.looksAt(at, world, r) ? 1 : 0;
    }
    return times;
  }

  private int whole(int i) {
    Renter r = renter(i);
    must(!r.cells.isEmpty(), STATE);
    for (int k = 0; k <= 100; k++) {
      boolean all = true;
      for (int c : r.cells) { all &= world.seen(c, world.night + k); }
      if (all) { return k; }
    }
    throw new Err(NONE);
  }

  private int stays(int i) {
    must(!renter(i).evicted, STATE);
    World w = world.copy();
    for (int k = 0; k <= 100; k++) {
      if (w.renters.get(i).evicted) { return k; }
      w.pass();
    }
    throw new Err(NONE);
  }

  private int clash() {
    int pairs = 0;
    for (int i = 0; i < world.renters.size(); i++) {
      for (int j = 0; j < i; j++) { pairs += world.clash(i, j) ? 1 : 0; }
    }
    return pairs;
  }

  private int least(int what) {
    range(what, 0, 1);
    int n = world.renters.size();
    for (int size = 0; size <= n; size++) {
      for (int set = 0; set < 1 << n; set++) {
        if (Integer.bitCount(set) == size && peace(set, n)) { return what == 0 ? size : set; }
      }
    }
    throw new IllegalStateException();
  }

  private boolean peace(int set, int n) {
    for (int i = 0; i < n; i++) {
      for (int j = 0; j < i; j++) {
        if ((set >> i & 1) == 0 && (set >> j & 1) == 0 && world.clash(i, j)) { return false; }
      }
    }
    return true;
  }

  private int beside(int i) {
    Renter r = renter(i);
    TreeSet<Integer> cells = new TreeSet<>();
    for (int c = 0; c < 24; c++) {
      List<Integer> who = world.holders(c);
      if (who.isEmpty() || r.cells.contains(c)) { continue; }
      for (int other : r.cells) {
        if (Math.abs(c / 8 - other / 8) + Math.abs(c % 8 - other % 8) == 1) { cells.add(c); }
      }
    }
    return setOf(cells);
  }

  private int rooms(int i, int what) {
    range(i, 0, 3);
    range(what, -1, world.renters.size() - 1);
    int[] s = theSheet(i);
    must(s.length == world.renters.size(), NONE);
    for (int v : s) { must(isSet(v), NONE); }
    int most = most(s, 0, new TreeSet<>());
    if (what < 0) { return most; }
    int[] row = new int[s.length];
    first(s, 0, new TreeSet<>(), most, row);
    return row[what];
  }

  /** Paths that exchange rooms, as Kuhn has them. */
  private static int most(int[] s, int from, TreeSet<Integer> taken) {
    int[] who = new int[24];
    java.util.Arrays.fill(who, -1);
    int most = 0;
    for (int i = from; i < s.length; i++) {
      if (place(s, i, taken, who, new boolean[24])) { most++; }
    }
    return most;
  }

  private static boolean place(int[] s, int i, TreeSet<Integer> taken, int[] who, boolean[] tried) {
    for (int c : cellsOf(s[i])) {
      if (taken.contains(c) || tried[c]) { continue; }
      tried[c] = true;
      if (who[c] < 0 || place(s, who[c], taken, who, tried)) {
        who[c] = i;
        return true;
      }
    }
    return false;
  }

  /** Goes through the rows in their order, and stops at the first with so many. */
  private static boolean first(int[] s, int i, TreeSet<Integer> taken, int left, int[] row) {
    if (most(s, i, taken) < left) { return false; }
    if (i == s.length) { return left == 0; }
    for (int c : cellsOf(s[i])) {
      if (taken.contains(c)) { continue; }
      taken.add(c);
      row[i] = c;
      if (first(s, i + 1, taken, left - 1, row)) { return true; }
      taken.remove(c);
    }
    row[i] = -1;
    return first(s, i + 1, taken, left, row);
  }

  private int falls(int p, int d) {
    range(p, 0, 15);
    range(d, 0, 6);
    int at = world.night;
    while (at % 16 != p || at % 7 != d) { at++; }
    return at - world.night;
  }

  private int was(int i) {
    int[] s = theSheet(i);
    for (int v : s) { must(v == 0 || v == 1, NONE); }
    TreeSet<Integer> cells = new TreeSet<>();
    for (int c = 0; c < 24; c++) {
      boolean fits = true;
      for (int k = 0; k < s.length; k++) { fits &= world.seen(c, world.night + k) == (s[k] == 1); }
      if (fits) { cells.add(c); }
    }
    return setOf(cells);
  }

  private int dear(int v) {
    range(v, 0, 99);
    for (int rent = v; rent >= 0; rent--) {
      for (int c = 0; c < 24; c++) {
        if (world.holders(c).isEmpty() && world.rent(c) == rent) { return c; }
      }
    }
    throw new Err(NONE);
  }

  private int voice(int i, int act, int x) {
    Kind k = renter(i).kind;
    range(act, 0, 3);
    trace = new ArrayList<>();
    k.trace = trace;
    k.n = i;
    return switch (act) {
      case 0 -> k.looks(x);
      case 1 -> k.pays(x);
      case 2 -> k.holds(x);
      default -> k.tells(x);
    };
  }

  private int sheet(int i, int b, int n) {
    range(i, 0, 3);
    must(b == 0 || b == 8 || b == 16 || b == 32, BEYOND);
    if (b != 0) {
      must(n >= 0, STATE);
      must(n <= 40, BEYOND);
    }
    bits[i] = b;
    sheets[i] = b == 0 ? null : new int[n];
    return 1;
  }

  private int put(int i, int at, int v) {
    int[] s = theSheet(i);
    range(at, 0, s.length - 1);
    s[at] = v << 32 - bits[i] >> 32 - bits[i];
    return 1;
  }

  private int move(int i, int at, int j, int to, int n) {
    range(i, 0, 3);
    range(j, 0, 3);
    int[] s = theSheet(i);
    int[] o = theSheet(j);
    must(bits[i] == bits[j], KIND);
    must(n >= 0 && at >= 0 && to >= 0, BEYOND);
    must((long) at + n <= s.length && (long) to + n <= o.length, BEYOND);
    int[] were = s.clone();
    for (int k = 0; k < n; k++) { o[to + k] = were[at + k]; }
    return n;
  }

  private int leases(int i) {
    int[] s = theSheet(i);
    int done = 0;
    while (done < s.length && isSet(s[done]) && done < world.renters.size()
        && !world.renters.get(done).evicted) {
      world.renters.get(done).cells = cellsOf(s[done]);
      done++;
    }
    return done;
  }

  private int judge(int i) {
    int[] s = theSheet(i);
    for (int k = 0; k < 50; k++) {
      boolean there = k < s.length;
      boolean rents = k < world.renters.size();
      if (there != rents) { return k; }
      if (there && s[k] != world.renters.get(k).purse) { return k; }
    }
    return -1;
  }

  private int check() {
    List<Integer> told = new ArrayList<>(world.waits);
    world.waits.clear();
    for (int k = 0; k < told.size(); k++) {
      if (told.get(k) != world.seenCount(world.night + k)) { return 1 + k; }
    }
    return 0;
  }

  private int count(int what) {
    range(what, 0, 10);
    int held = 0;
    for (int c = 0; c < 24; c++) { held += world.holders(c).isEmpty() ? 0 : 1; }
    return switch (what) {
      case 0 -> world.renters.size();
      case 1 -> world.night;
      case 2 -> world.night % 16;
      case 3 -> world.weather;
      case 4 -> held;
      case 5 -> world.seenCount(world.night);
      case 6 -> world.evicted();
      case 7 -> world.tape.size();
      case 8 -> world.waits.size();
      case 9 -> trace.size();
      default -> world.z;
    };
  }
}
