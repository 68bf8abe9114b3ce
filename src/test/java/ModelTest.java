import java.util.ArrayList;
import java.util.List;

/** Long runs of made-up calls on the class and on ModelHall, which must answer alike. */
public final class ModelTest {
  /** A run that asks much is done by many objects (see Hall); every other one asks little, and one object does it all. */
  private static final int RUNS = 1000, CALLS = 480;

  interface Call {
    long on();
  }

  private long seed;
  /** In a crowded run all guests begin on host 0, are seldom moved, and no host fails: frames are short there. */
  private boolean isCrowded;
  private long fullHosts;
  private Hall hall;
  private ModelHall model;
  private final List<String> calls = new ArrayList<>();

  private int below(int bound) {
    seed = seed * 6364136223846793005L + 1442695040888963407L;
    return (int) ((seed >>> 33) % bound);
  }

  /** Mostly a number that may stand there, at times one behind the edges. */
  private int near(int bound) {
    return below(25) == 0 ? (below(2) == 0 ? -1 : bound) : below(bound);
  }

  static String answerOf(Call call) {
    try {
      return Long.toString(call.on());
    } catch (IndexOutOfBoundsException | IllegalArgumentException | IllegalStateException e) {
      // A throw of the classes themselves; what the machine or the library throws has another place.
      boolean isOwn = e.getStackTrace().length == 0 || e.getStackTrace()[0].getClassName().matches("(GuestHall|ModelHall).*");
      return (isOwn ? "throws " : "the machine threw ") + e.getClass().getSimpleName();
    } catch (RuntimeException e) {
      return "the machine threw " + e;
    }
  }

  private boolean same(String text, Call one, Call other) {
    String got = answerOf(one);
    String due = answerOf(other);
    calls.add(text + " -> " + got);
    if (!got.equals(due)) {
      calls.add("    due was " + due);
      return false;
    }
    return true;
  }

  private boolean makeGuest() {
    int host = isCrowded ? 0 : near(2), weight = 1 + near(4);
    boolean sealed = below(5) == 0;
    return same("guest(" + host + ", " + weight + ", " + sealed + ")", () -> hall.guest(host, weight, sealed), () -> model.guest(host, weight, sealed));
  }

  private boolean instruct(int guest, int what, int a, int b) {
    return same("instruct(" + guest + ", " + what + ", " + a + ", " + b + ")", () -> hall.instruct(guest, what, a, b), () -> model.instruct(guest, what, a, b));
  }

  /** Mostly programs that go round and touch many pages; some that end, fault or hold nonsense. */
  private boolean makeProgram(int guest) {
    boolean goesRound = below(6) != 0;
    int length = below(21) + 1;
    if (below(2) == 0 && !instruct(guest, GuestHall.HANDLE, 0, below(length + 2))) return false;
    for (int i = 0; i < length; i++) if (!makeInstruction(guest)) return false;
    return !goesRound || instruct(guest, GuestHall.SET, 3, 1) && instruct(guest, GuestHall.JUMP, 3, below(3));
  }

  private boolean makeInstruction(int guest) {
    int kind = isCrowded && below(2) == 0 ? 10 + below(8) : below(40);
    if (kind == 39) return below(4) != 0 || instruct(guest, near(14), near(8), near(10));
    if (kind < 7) return instruct(guest, GuestHall.SET, below(2), below(40) == 0 ? near(10000) : below(3));
    if (kind < 16) return instruct(guest, GuestHall.SET, 2, below(100) == 0 ? near(10000) : below(32)) && instruct(guest, GuestHall.STORE, below(4), 2);
    if (kind < 20) return instruct(guest, GuestHall.SET, 2, below(100) == 0 ? 32 : below(32)) && instruct(guest, GuestHall.LOAD, below(2), 2);
    if (kind < 22) return instruct(guest, GuestHall.ADD, near(3), near(4));
    if (kind < 23) return instruct(guest, GuestHall.JUMP, near(4), near(24));
    if (kind < 26) return instruct(guest, GuestHall.OUT, below(4), below(3) == 0 ? near(2) : 0);
    if (kind < 28) return instruct(guest, GuestHall.OUT, below(2), 1) && instruct(guest, GuestHall.WAIT, below(30), below(30));
    if (kind < 31) return instruct(guest, GuestHall.IN, below(3), near(3));
    if (kind == 31) return instruct(guest, GuestHall.MAP, near(8), below(4) == 0 ? near(9) : below(8));
    if (kind == 32) return below(4) != 0 || instruct(guest, GuestHall.WAIT, below(30), below(30));
    if (kind == 33) return instruct(guest, GuestHall.HANDLE, below(30), near(24));
    if (kind == 34) return instruct(guest, GuestHall.MASK, below(30), below(4) == 0 ? 1 : near(2));
    if (kind < 37) return instruct(guest, GuestHall.BACK, below(30), below(30));
    if (kind == 37) return instruct(guest, GuestHall.GIVE, below(30), near(8));
    return below(8) != 0 || instruct(guest, GuestHall.STOP, below(30), below(30));
  }

  private boolean makeCall() {
    int guest = near(Math.max(1, model.guests.size())), host = near(2), number = near(10);
    boolean yes = below(isCrowded ? 6 : 2) == 0;
    switch (below(26)) {
      case 0: return below(3) != 0 || makeGuest() && makeProgram(Math.max(0, model.guests.size() - 1));
      case 1: return makeInstruction(guest);
      case 2: return same("pause(" + guest + ", " + (number == 0) + ")", () -> hall.pause(guest, number == 0) ? 1 : 0, () -> model.pause(guest, number == 0) ? 1 : 0);
      case 3: return same("scale(" + guest + ", " + number % 5 + ")", () -> hall.scale(guest, number % 5), () -> model.scale(guest, number % 5));
      case 4, 5, 6: {
        int value = near(10000);
        return same("input(" + guest + ", " + value + ")", () -> hall.input(guest, value), () -> model.input(guest, value));
      }
      case 7: return same("send(" + guest + ")", () -> hall.send(guest) ? 1 : 0, () -> model.send(guest) ? 1 : 0);
      case 8, 9, 10, 11, 12: {
        int ticks = below(60) == 0 ? near(101) : 1 + below(isCrowded ? 40 : 12);
        return same("tick(" + ticks + ")", () -> hall.tick(ticks), () -> model.tick(ticks));
      }
      case 13: return same("share(" + host + ")", () -> hall.share(host), () -> model.share(host));
      case 14, 15: return same("move(" + guest + ")", () -> hall.move(guest), () -> model.move(guest));
      case 16, 17: return same("round(" + guest + ", " + number % 4 + ")", () -> hall.round(guest, number % 4), () -> model.round(guest, number % 4));
      case 18: return same("land(" + guest + ", " + yes + ")", () -> hall.land(guest, yes), () -> model.land(guest, yes));
      case 19: return below(3) != 0 || same("snapshot(" + guest + ")", () -> hall.snapshot(guest), () -> model.snapshot(guest));
      case 20: return same("restore(" + guest + ", " + number + ")", () -> hall.restore(guest, number), () -> model.restore(guest, number));
      case 21: return same("follow(" + guest + ", " + (number > 2) + ")", () -> hall.follow(guest, number > 2) ? 1 : 0, () -> model.follow(guest, number > 2) ? 1 : 0);
      case 22, 23: return same("step(" + guest + ")", () -> hall.step(guest), () -> model.step(guest));
      case 24: return isCrowded || below(5) != 0 || same("fail(" + host + ")", () -> hall.fail(host), () -> model.fail(host));
      default: return same("mend(" + host + ")", () -> { hall.mend(host); return 0; }, () -> { model.mend(host); return 0; });
    }
  }

  private boolean sameAnswers() {
    if (!quietly("time()", hall.time(), model.time())) return false;
    for (int h = 0; h < 2; h++) if (!quietly("used(" + h + ")", hall.used(h), model.used(h))) return false;
    for (int i = 0; i < model.guests.size(); i++) if (!sameGuest(i)) return false;
    for (int i = 0; i < model.snapshots.size(); i++) if (!quietly("stored", hall.stored(i), model.stored(i))) return false;
    return true;
  }

  private boolean sameGuest(int g) {
    for (int i = 0; i <= 10; i++) if (!quietly("of", hall.of(g, i), model.of(g, i), g, i)) return false;
    for (int i = 0; i < 4; i++) if (!quietly("register", hall.register(g, i), model.register(g, i), g, i)) return false;
    for (int i = 0; i < 6; i++) if (!quietly("exits", hall.exits(g, i), model.exits(g, i), g, i)) return false;
    for (int i = 0; i < 8; i++) {
      if (!quietly("pageOf", hall.pageOf(g, i), model.pageOf(g, i), g, i)) return false;
      if (!quietly("frameOf", hall.frameOf(g, i), model.frameOf(g, i), g, i)) return false;
      for (int j = 0; j < 4; j++) if (!quietly("word", hall.word(g, i, j), model.word(g, i, j), g, i, j)) return false;
    }
    int out = model.out(g);
    if (!quietly("out", hall.out(g), out, g)) return false;
    for (int i = Math.max(0, out - 20); i < out; i++) if (!quietly("outAt", hall.outAt(g, i), model.outAt(g, i), g, i)) return false;
    return quietly("held", hall.held(g), model.held(g), g) && quietly("isAsPlain", hall.isAsPlain(g) ? 1 : 0, 1, g);
  }

  /** One question with made-up arguments, at times behind the edges. */
  private boolean askOne() {
    int g = near(Math.max(1, model.guests.size())), n = near(11), page = near(8), place = near(4);
    switch (below(11)) {
      case 0, 1: return same("of(" + g + ", " + n + ")", () -> hall.of(g, n), () -> model.of(g, n));
      case 2: return same("register(" + g + ", " + place + ")", () -> hall.register(g, place), () -> model.register(g, place));
      case 3: return same("word(" + g + ", " + page + ", " + place + ")", () -> hall.word(g, page, place), () -> model.word(g, page, place));
      case 4: return same("pageOf(" + g + ", " + page + ")", () -> hall.pageOf(g, page), () -> model.pageOf(g, page));
      case 5: return same("frameOf(" + g + ", " + page + ")", () -> hall.frameOf(g, page), () -> model.frameOf(g, page));
      case 6: return same("exits(" + g + ", " + n % 7 + ")", () -> hall.exits(g, n % 7), () -> model.exits(g, n % 7));
      case 7: return same("out(" + g + ")", () -> hall.out(g), () -> model.out(g));
      case 8: return same("held(" + g + ")", () -> hall.held(g), () -> model.held(g));
      case 9: return same("stored(" + n + ")", () -> hall.stored(n), () -> model.stored(n));
      default: return same("used(" + place % 3 + ")", () -> hall.used(place % 3), () -> model.used(place % 3));
    }
  }

  private boolean quietly(String what, long got, long due, int... at) {
    if (got != due) calls.add(what + java.util.Arrays.toString(at) + " -> " + got + "\n    due was " + due);
    return got == due;
  }

  /** All questions with arguments at the edges and behind them. */
  private boolean sameAtEdges() {
    int guests = model.guests.size();
    for (int g : new int[] {Integer.MIN_VALUE, -1, 0, guests - 1, guests, Integer.MAX_VALUE}) {
      for (int n : new int[] {Integer.MIN_VALUE, -1, 0, 3, 4, 5, 6, 7, 8, 10, 11, Integer.MAX_VALUE}) {
        if (!same("of(" + g + ", " + n + ")", () -> hall.of(g, n), () -> model.of(g, n))
          || !same("register(" + g + ", " + n + ")", () -> hall.register(g, n), () -> model.register(g, n))
          || !same("word(" + g + ", " + n + ", 3)", () -> hall.word(g, n, 3), () -> model.word(g, n, 3))
          || !same("word(" + g + ", 7, " + n + ")", () -> hall.word(g, 7, n), () -> model.word(g, 7, n))
          || !same("pageOf(" + g + ", " + n + ")", () -> hall.pageOf(g, n), () -> model.pageOf(g, n))
          || !same("frameOf(" + g + ", " + n + ")", () -> hall.frameOf(g, n), () -> model.frameOf(g, n))
          || !same("exits(" + g + ", " + n + ")", () -> hall.exits(g, n), () -> model.exits(g, n))
          || !same("outAt(" + g + ", " + n + ")", () -> hall.outAt(g, n), () -> model.outAt(g, n))
          || !same("stored(" + n + ")", () -> hall.stored(n), () -> model.stored(n))
          || !same("used(" + n + ")", () -> hall.used(n), () -> model.used(n))) return false;
      }
      if (!same("out(" + g + ")", () -> hall.out(g), () -> model.out(g))
        || !same("held(" + g + ")", () -> hall.held(g), () -> model.held(g))
        || !same("isAsPlain(" + g + ")", () -> hall.isAsPlain(g) ? 1 : 0, () -> model.isAsPlain(g) ? 1 : 0)) return false;
    }
    return true;
  }

  private boolean run(int number) {
    seed = number;
    hall = new Hall();
    model = new ModelHall();
    calls.clear();
    isCrowded = below(2) == 0;
    int guests = isCrowded ? 5 : 3 + below(3);
    for (int i = 0; i < guests; i++) {
      if (!makeGuest() || !makeProgram(Math.max(0, model.guests.size() - 1))) return false;
    }
    boolean isSparing = number % 2 == 0;
    while (calls.size() < (isSparing ? Hall.CALLS : CALLS)) {
      if (!makeCall()) return false;
      if (isSparing ? !askOne() : below(6) == 0 && !sameAnswers()) return false;
      if (model.used(0) == 16) fullHosts++;
    }
    return sameAnswers() && sameAtEdges();
  }

  public static void main(String[] args) {
    ModelTest test = new ModelTest();
    int runs = args.length > 0 ? Integer.parseInt(args[0]) : RUNS;
    long[] seen = new long[14];
    for (int number = 1; number <= runs; number++) {
      if (!test.run(number)) {
        System.out.println("run " + number + ":");
        for (String call : test.calls) System.out.println("  " + call);
        System.exit(1);
      }
      test.countWhatWasSeen(seen);
    }
    System.out.println(runs + " made-up runs answer as the model does; seen: exits " + seen[0] + " " + seen[1] + " " + seen[2]
      + " " + seen[3] + " " + seen[4] + " " + seen[5] + ", states " + seen[6] + " " + seen[7] + " " + seen[8] + " " + seen[9]
      + ", numbers out " + seen[10] + ", full hosts " + seen[11] + ", pages sent " + seen[12] + ", stolen " + seen[13]);
  }

  /** Runs that never meet a full host, say, would prove little: main prints these. */
  private void countWhatWasSeen(long[] seen) {
    seen[11] = fullHosts;
    for (int g = 0; g < model.guests.size(); g++) {
      for (int kind = 0; kind < 6; kind++) seen[kind] += model.exits(g, kind);
      seen[6 + model.of(g, 0)]++;
      seen[10] += model.out(g);
      seen[12] += model.of(g, 10);
      seen[13] += model.of(g, 6);
    }
  }
}
