import java.util.ArrayList;
import java.util.List;

/**
 * A GuestHall that can be made anew as it stands, by doing again what was done to it. So a test may ask as much as it
 * likes, though an object is promised for 512 calls alone: the object behind this one changes when it is used up.
 */
final class Hall {
  static final int CALLS = 512;

  interface Call {
    long on(GuestHall hall);
  }

  private final List<Call> changes = new ArrayList<>();
  private GuestHall now = new GuestHall();
  private int used;

  /** A new object in the same state; it has done no question and no call that was refused. */
  GuestHall renewed() {
    now = new GuestHall();
    for (Call change : changes) change.on(now);
    used = changes.size();
    return now;
  }

  private GuestHall usable() {
    if (used >= CALLS) renewed();
    used++;
    return now;
  }

  private long change(Call change) {
    long answer = change.on(usable());
    changes.add(change);
    return answer;
  }

  int guest(int host, int weight, boolean isSealed) {
    return (int) change(hall -> hall.guest(host, weight, isSealed));
  }

  int instruct(int guest, int what, int a, int b) {
    return (int) change(hall -> hall.instruct(guest, what, a, b));
  }

  boolean pause(int guest, boolean isPaused) {
    return change(hall -> hall.pause(guest, isPaused) ? 1 : 0) == 1;
  }

  int scale(int guest, int scale) {
    return (int) change(hall -> hall.scale(guest, scale));
  }

  int input(int guest, int value) {
    return (int) change(hall -> hall.input(guest, value));
  }

  boolean send(int guest) {
    return change(hall -> hall.send(guest) ? 1 : 0) == 1;
  }

  int tick(int ticks) {
    return (int) change(hall -> hall.tick(ticks));
  }

  int share(int host) {
    return (int) change(hall -> hall.share(host));
  }

  int move(int guest) {
    return (int) change(hall -> hall.move(guest));
  }

  int round(int guest, int pages) {
    return (int) change(hall -> hall.round(guest, pages));
  }

  int land(int guest, boolean isWanted) {
    return (int) change(hall -> hall.land(guest, isWanted));
  }

  int snapshot(int guest) {
    return (int) change(hall -> hall.snapshot(guest));
  }

  int restore(int guest, int snapshot) {
    return (int) change(hall -> hall.restore(guest, snapshot));
  }

  boolean follow(int guest, boolean isFollowed) {
    return change(hall -> hall.follow(guest, isFollowed) ? 1 : 0) == 1;
  }

  int step(int guest) {
    return (int) change(hall -> hall.step(guest));
  }

  int fail(int host) {
    return (int) change(hall -> hall.fail(host));
  }

  void mend(int host) {
    change(hall -> {
      hall.mend(host);
      return 0;
    });
  }

  int time() {
    return usable().time();
  }

  int of(int guest, int what) {
    return usable().of(guest, what);
  }

  int register(int guest, int register) {
    return usable().register(guest, register);
  }

  int word(int guest, int page, int place) {
    return usable().word(guest, page, place);
  }

  int pageOf(int guest, int page) {
    return usable().pageOf(guest, page);
  }

  int frameOf(int guest, int page) {
    return usable().frameOf(guest, page);
  }

  int used(int host) {
    return usable().used(host);
  }

  int exits(int guest, int kind) {
    return usable().exits(guest, kind);
  }

  int out(int guest) {
    return usable().out(guest);
  }

  int outAt(int guest, int place) {
    return usable().outAt(guest, place);
  }

  int held(int guest) {
    return usable().held(guest);
  }

  int stored(int snapshot) {
    return usable().stored(snapshot);
  }

  boolean isAsPlain(int guest) {
    return usable().isAsPlain(guest);
  }
}
