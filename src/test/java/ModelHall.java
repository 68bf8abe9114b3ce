import java.util.ArrayList;
import java.util.List;

/**
 * The document once more, held in another way than the class does it, to compare answers with: words live in the
 * frames, timers are set to a time, and a clock is the ticks since the guest was made, scaled and shifted.
 */
final class ModelHall {
  static final class Frame {
    final List<int[]> pages = new ArrayList<>(); // {guest, page}
    int[] words = new int[4];
    int used;
  }

  static final class Page {
    int how = GuestHall.BARE;
    int[] words = new int[4]; // while it is swapped
    Frame frame;
  }

  static final class Kept {
    int guest, next, handler, saved, cause, how, left, clock, stored;
    boolean masked, timer, sent;
    int[] registers, views;
    int[][] words;
    List<Integer> inputs;
  }

  static final class Guest {
    int host, weight, how, next, handler = -1, saved, cause, scale = 1, shift, made, stolen, ran, moved, goesOff = -1;
    boolean sealed, paused, masked, timer, sent, used, followed;
    final List<int[]> program = new ArrayList<>();
    int[] registers = new int[4];
    int[] views = {0, 1, 2, 3, 4, 5, 6, 7};
    Page[] pages = new Page[8];
    int[] exits = new int[6];
    boolean[] toSend; // null while it is not being moved
    List<Integer> inputs = new ArrayList<>(), since = new ArrayList<>(), out = new ArrayList<>(), held = new ArrayList<>();
    Kept step, last;
  }

  final List<Guest> guests = new ArrayList<>();
  final List<Kept> snapshots = new ArrayList<>();
  final Frame[][] frames = new Frame[2][16];
  final boolean[] failed = new boolean[2];
  final int[] last = {-1, -1}, row = {0, 0};
  int time;

  ModelHall() {
    for (Frame[] some : frames) for (int i = 0; i < 16; i++) some[i] = new Frame();
  }

  private static void bounds(boolean ok) {
    if (!ok) throw new IndexOutOfBoundsException();
  }

  private static void arguments(boolean ok) {
    if (!ok) throw new IllegalArgumentException();
  }

  private static void state(boolean ok) {
    if (!ok) throw new IllegalStateException();
  }

  private Guest at(int guest) {
    bounds(guest >= 0 && guest < guests.size());
    return guests.get(guest);
  }

  int guest(int host, int weight, boolean sealed) {
    bounds(host == 0 || host == 1);
    arguments(1 <= weight && weight <= 4);
    state(guests.size() < 5 && !failed[host]);
    Guest g = new Guest();
    g.host = host;
    g.weight = weight;
    g.sealed = sealed;
    g.made = time;
    for (int i = 0; i < 8; i++) g.pages[i] = new Page();
    guests.add(g);
    return guests.size() - 1;
  }

  int instruct(int guest, int what, int a, int b) {
    Guest g = at(guest);
    arguments(what >= 0 && what <= 13);
    switch (what) {
      case GuestHall.SET, GuestHall.ADD, GuestHall.LOAD, GuestHall.STORE, GuestHall.JUMP, GuestHall.OUT, GuestHall.IN ->
        arguments(0 <= a && a <= 3);
      case GuestHall.MAP -> arguments(0 <= a && a <= 7);
      default -> { }
    }
    switch (what) {
      case GuestHall.SET -> arguments(0 <= b && b <= 9999);
      case GuestHall.ADD, GuestHall.LOAD, GuestHall.STORE -> arguments(0 <= b && b <= 3);
      case GuestHall.JUMP, GuestHall.HANDLE -> arguments(0 <= b && b <= 23);
      case GuestHall.MAP -> arguments(0 <= b && b <= 8);
      case GuestHall.OUT, GuestHall.MASK -> arguments(0 <= b && b <= 1);
      case GuestHall.IN -> arguments(0 <= b && b <= 2);
      case GuestHall.GIVE -> arguments(0 <= b && b <= 7);
      default -> { }
    }
    state(g.program.size() < 24 && !g.used);
    g.program.add(new int[] {what, a, b});
    return g.program.size() - 1;
  }

  boolean pause(int guest, boolean paused) {
    Guest g = at(guest);
    boolean was = g.paused;
    g.paused = paused;
    return was;
  }

  private int clock(Guest g) {
    return Math.floorMod((time - g.made) * g.scale + g.shift, 10000);
  }

  int scale(int guest, int scale) {
    Guest g = at(guest);
    arguments(1 <= scale && scale <= 3);
    int was = g.scale;
    g.shift += (time - g.made) * (was - scale);
    g.scale = scale;
    return was;
  }

  int input(int guest, int value) {
    Guest g = at(guest);
    arguments(0 <= value && value <= 9999);
    state(g.inputs.size() < 20);
    g.inputs.add(value);
    g.since.add(value);
    return g.inputs.size();
  }

  boolean send(int guest) {
    Guest g = at(guest);
    state(g.how != GuestHall.STOPPED && g.how != GuestHall.DEAD);
    boolean was = g.sent;
    g.sent = true;
    g.how = GuestHall.READY;
    return was;
  }

  int tick(int ticks) {
    arguments(1 <= ticks && ticks <= 100);
    state(time + ticks <= 3000);
    for (int i = 0; i < ticks; i++) tick();
    return time;
  }

  private void tick() {
    for (Guest g : guests) {
      if (g.goesOff == time + 1) {
        g.timer = true;
        g.goesOff = -1;
      }
      if (g.how == GuestHall.WAITING && (g.timer || g.sent)) g.how = GuestHall.READY;
    }
    for (int host = 0; host < 2; host++) {
      List<Integer> can = new ArrayList<>();
      for (int i = 0; i < guests.size(); i++) {
        Guest g = guests.get(i);
        if (g.host == host && g.how == GuestHall.READY && !g.paused && !failed[host]) can.add(i);
      }
      if (can.isEmpty()) continue;
      int runs = -1;
      if (can.contains(last[host]) && row[host] < guests.get(last[host]).weight) {
        runs = last[host];
      } else {
        row[host] = 0;
        for (int i : can) if (runs < 0 && i > last[host]) runs = i;
        if (runs < 0) runs = can.get(0);
      }
      last[host] = runs;
      row[host]++;
      for (int i : can) if (i != runs) guests.get(i).stolen++;
      run(runs);
    }
    time++;
  }

  private void run(int number) {
    Guest g = guests.get(number);
    g.used = true;
    g.ran++;
    if ((g.timer || g.sent) && !g.masked && g.handler >= 0) {
      g.exits[GuestHall.LET]++;
      int cause = g.timer ? 2 : 3;
      if (g.timer) g.timer = false; else g.sent = false;
      toHandler(g, cause);
    }
    if (g.next >= g.program.size()) {
      g.how = GuestHall.STOPPED;
      return;
    }
    int[] it = g.program.get(g.next);
    int a = it[1], b = it[2];
    int then = g.next + 1;
    switch (it[0]) {
      case GuestHall.SET -> g.registers[a] = b;
      case GuestHall.ADD -> g.registers[a] = (g.registers[a] + g.registers[b]) % 10000;
      case GuestHall.LOAD, GuestHall.STORE -> {
        int address = g.registers[b];
        int page = address > 31 ? 8 : g.views[address / 4];
        if (page == 8) {
          if (g.handler < 0 || g.masked) {
            g.how = GuestHall.DEAD;
            return;
          }
          toHandler(g, 1);
          return;
        }
        if (it[0] == GuestHall.LOAD) {
          g.registers[a] = frame(number, page, false).words[address % 4];
        } else {
          frame(number, page, true).words[address % 4] = g.registers[a];
          if (g.toSend != null) g.toSend[page] = true;
        }
      }
      case GuestHall.JUMP -> then = g.registers[a] != 0 ? b : then;
      case GuestHall.MAP -> g.views[a] = b;
      case GuestHall.OUT -> {
        g.exits[GuestHall.TOLD]++;
        if (b == 1) g.goesOff = g.registers[a] == 0 ? -1 : time + 1 + g.registers[a];
        else if (g.followed) g.held.add(g.registers[a]);
        else g.out.add(g.registers[a]);
      }
      case GuestHall.IN -> {
        g.exits[GuestHall.TOLD]++;
        if (b == 0) g.registers[a] = g.inputs.isEmpty() ? 0 : g.inputs.remove(0);
        if (b == 1) g.registers[a] = clock(g);
        if (b == 2) g.registers[a] = g.cause;
      }
      case GuestHall.WAIT -> {
        g.exits[GuestHall.RESTS]++;
        if (!g.timer && !g.sent) g.how = GuestHall.WAITING;
      }
      case GuestHall.HANDLE -> g.handler = b;
      case GuestHall.MASK -> g.masked = b == 1;
      case GuestHall.BACK -> {
        then = g.saved;
        g.masked = false;
      }
      case GuestHall.GIVE -> {
        setPage(number, b, new int[4], GuestHall.BARE);
        if (g.toSend != null) g.toSend[b] = true;
      }
      default -> {
        g.exits[GuestHall.RESTS]++;
        g.how = GuestHall.STOPPED;
      }
    }
    g.next = then;
  }

  private static void toHandler(Guest g, int cause) {
    g.saved = g.next;
    g.next = g.handler;
    g.masked = true;
    g.cause = cause;
  }

  /** The frame in which a word of a page is read or written now. */
  private Frame frame(int number, int page, boolean isWritten) {
    Guest g = guests.get(number);
    Page p = g.pages[page];
    if (p.how != GuestHall.HELD) {
      g.exits[p.how == GuestHall.BARE ? GuestHall.GIVEN : GuestHall.BROUGHT]++;
      getFrame(number, page, null, p.words);
    } else if (isWritten && p.frame.pages.size() > 1) {
      g.exits[GuestHall.COPIED]++;
      Frame old = p.frame;
      old.pages.removeIf(x -> x[0] == number && x[1] == page);
      getFrame(number, page, old, old.words);
    }
    p.frame.used = time + 1;
    return p.frame;
  }

  private void getFrame(int number, int page, Frame spared, int[] words) {
    Guest g = guests.get(number);
    Frame got = null;
    for (Frame f : frames[g.host]) if (got == null && f.pages.isEmpty()) got = f;
    if (got == null) {
      for (Frame f : frames[g.host]) if (f != spared && (got == null || f.used < got.used)) got = f;
      for (int[] x : new ArrayList<>(got.pages)) setPage(x[0], x[1], got.words.clone(), GuestHall.SWAPPED);
    }
    got.words = words.clone();
    got.pages.add(new int[] {number, page});
    g.pages[page].how = GuestHall.HELD;
    g.pages[page].frame = got;
  }

  private void setPage(int number, int page, int[] words, int how) {
    Page p = guests.get(number).pages[page];
    if (p.frame != null) p.frame.pages.removeIf(x -> x[0] == number && x[1] == page);
    p.frame = null;
    p.how = how;
    p.words = words;
  }

  private int[] words(Guest g, int page) {
    Page p = g.pages[page];
    return (p.how == GuestHall.HELD ? p.frame.words : p.words).clone();
  }

  int share(int host) {
    bounds(host == 0 || host == 1);
    int free = 0;
    for (int i = 0; i < 16; i++) {
      for (int j = i + 1; j < 16; j++) {
        Frame low = frames[host][i], high = frames[host][j];
        if (low.pages.isEmpty() || high.pages.isEmpty() || !java.util.Arrays.equals(low.words, high.words)) continue;
        boolean sealed = false;
        for (int[] x : low.pages) sealed |= guests.get(x[0]).sealed;
        for (int[] x : high.pages) sealed |= guests.get(x[0]).sealed;
        if (sealed) continue;
        for (int[] x : high.pages) guests.get(x[0]).pages[x[1]].frame = low;
        low.pages.addAll(high.pages);
        high.pages.clear();
        low.used = Math.max(low.used, high.used);
        free++;
      }
    }
    return free;
  }

  private static int count(boolean[] some) {
    int n = 0;
    for (boolean one : some) if (one) n++;
    return n;
  }

  int move(int guest) {
    Guest g = at(guest);
    state(g.toSend == null && g.how != GuestHall.DEAD && !failed[1 - g.host]);
    g.toSend = new boolean[8];
    for (int i = 0; i < 8; i++) g.toSend[i] = g.pages[i].how != GuestHall.BARE;
    return count(g.toSend);
  }

  int round(int guest, int pages) {
    Guest g = at(guest);
    arguments(1 <= pages && pages <= 8);
    state(g.toSend != null);
    for (int i = 0, n = 0; i < 8; i++) {
      if (g.toSend[i] && n < pages) {
        g.toSend[i] = false;
        g.moved++;
        n++;
      }
    }
    return count(g.toSend);
  }

  int land(int guest, boolean wanted) {
    Guest g = at(guest);
    state(g.toSend != null);
    int n = wanted ? count(g.toSend) : 0;
    g.toSend = null;
    g.moved += n;
    if (wanted) {
      for (int i = 0; i < 8; i++) {
        if (g.pages[i].how != GuestHall.BARE) setPage(guest, i, words(g, i), GuestHall.SWAPPED);
      }
      g.host = 1 - g.host;
    }
    return n;
  }

  private Kept keep(int guest) {
    Guest g = guests.get(guest);
    Kept k = new Kept();
    k.guest = guest;
    k.next = g.next;
    k.handler = g.handler;
    k.saved = g.saved;
    k.cause = g.cause;
    k.how = g.how;
    k.left = g.goesOff < 0 ? -1 : g.goesOff - time;
    k.clock = clock(g);
    k.masked = g.masked;
    k.timer = g.timer;
    k.sent = g.sent;
    k.registers = g.registers.clone();
    k.views = g.views.clone();
    k.words = new int[8][];
    for (int i = 0; i < 8; i++) k.words[i] = words(g, i);
    k.inputs = new ArrayList<>(g.inputs);
    return k;
  }

  private int bringBack(Kept k) {
    Guest g = guests.get(k.guest);
    g.next = k.next;
    g.handler = k.handler;
    g.saved = k.saved;
    g.cause = k.cause;
    g.how = k.how;
    g.goesOff = k.left < 0 ? -1 : time + k.left;
    g.shift = k.clock - (time - g.made) * g.scale;
    g.masked = k.masked;
    g.timer = k.timer;
    g.sent = k.sent;
    g.registers = k.registers.clone();
    g.views = k.views.clone();
    int n = 0;
    for (int i = 0; i < 8; i++) {
      boolean zero = k.words[i][0] == 0 && k.words[i][1] == 0 && k.words[i][2] == 0 && k.words[i][3] == 0;
      setPage(k.guest, i, k.words[i].clone(), zero ? GuestHall.BARE : GuestHall.SWAPPED);
      if (!zero) n++;
    }
    g.inputs = new ArrayList<>(k.inputs);
    g.toSend = null;
    g.used = true;
    return n;
  }

  int snapshot(int guest) {
    Guest g = at(guest);
    state(g.how != GuestHall.DEAD && snapshots.size() < 10);
    Kept k = keep(guest);
    for (int i = 0; i < 8; i++) {
      if (!java.util.Arrays.equals(k.words[i], g.last == null ? new int[4] : g.last.words[i])) k.stored++;
    }
    g.last = k;
    snapshots.add(k);
    return snapshots.size() - 1;
  }

  int restore(int guest, int snapshot) {
    Guest g = at(guest);
    bounds(snapshot >= 0 && snapshot < snapshots.size());
    Kept k = snapshots.get(snapshot);
    state(k.guest == guest && !g.followed && !failed[g.host]);
    g.last = k;
    return bringBack(k);
  }

  boolean follow(int guest, boolean followed) {
    Guest g = at(guest);
    state(g.how != GuestHall.DEAD);
    boolean was = g.followed;
    g.followed = followed;
    goOut(guest, followed);
    return was;
  }

  private int goOut(int guest, boolean isKept) {
    Guest g = guests.get(guest);
    if (isKept) {
      g.step = keep(guest);
      g.since.clear();
    }
    int n = g.held.size();
    g.out.addAll(g.held);
    g.held.clear();
    return n;
  }

  int step(int guest) {
    Guest g = at(guest);
    state(g.followed);
    return goOut(guest, true);
  }

  int fail(int host) {
    bounds(host == 0 || host == 1);
    state(!failed[host]);
    failed[host] = true;
    int n = 0;
    for (int i = 0; i < guests.size(); i++) {
      Guest g = guests.get(i);
      g.toSend = null;
      if (g.host != host) continue;
      g.held.clear();
      if (g.followed && !failed[1 - host]) {
        n++;
        bringBack(g.step);
        g.inputs.addAll(g.since);
        g.host = 1 - host;
      } else {
        g.how = GuestHall.DEAD;
        for (int p = 0; p < 8; p++) setPage(i, p, new int[4], GuestHall.BARE);
      }
      g.followed = false;
    }
    return n;
  }

  void mend(int host) {
    bounds(host == 0 || host == 1);
    state(failed[host]);
    failed[host] = false;
  }

  int time() {
    return time;
  }

  int of(int guest, int what) {
    Guest g = at(guest);
    arguments(what >= 0 && what <= 10);
    return switch (what) {
      case 0 -> g.how;
      case 1 -> g.host;
      case 2 -> g.next;
      case 3 -> g.cause;
      case 4 -> g.masked ? 1 : 0;
      case 5 -> clock(g);
      case 6 -> g.stolen;
      case 7 -> g.ran;
      case 8 -> g.inputs.size();
      case 9 -> g.toSend == null ? -1 : count(g.toSend);
      default -> g.moved;
    };
  }

  int register(int guest, int register) {
    Guest g = at(guest);
    bounds(register >= 0 && register < 4);
    return g.sealed ? -1 : g.registers[register];
  }

  int word(int guest, int page, int place) {
    Guest g = at(guest);
    bounds(page >= 0 && page < 8 && place >= 0 && place < 4);
    return g.sealed ? -1 : words(g, page)[place];
  }

  int pageOf(int guest, int page) {
    Guest g = at(guest);
    bounds(page >= 0 && page < 8);
    return g.pages[page].how;
  }

  int frameOf(int guest, int page) {
    Guest g = at(guest);
    bounds(page >= 0 && page < 8);
    for (int i = 0; i < 16; i++) if (frames[g.host][i] == g.pages[page].frame) return i;
    return -1;
  }

  int used(int host) {
    bounds(host == 0 || host == 1);
    int n = 0;
    for (Frame f : frames[host]) if (!f.pages.isEmpty()) n++;
    return n;
  }

  int exits(int guest, int kind) {
    Guest g = at(guest);
    arguments(kind >= 0 && kind <= 5);
    return g.exits[kind];
  }

  int out(int guest) {
    return at(guest).out.size();
  }

  int outAt(int guest, int place) {
    Guest g = at(guest);
    bounds(place >= 0 && place < g.out.size());
    return g.out.get(place);
  }

  int held(int guest) {
    return at(guest).held.size();
  }

  int stored(int snapshot) {
    bounds(snapshot >= 0 && snapshot < snapshots.size());
    return snapshots.get(snapshot).stored;
  }

  boolean isAsPlain(int guest) {
    at(guest);
    return true;
  }
}
